import java.lang.reflect.Constructor;
import java.lang.reflect.Field;
import java.lang.reflect.Method;
import java.lang.reflect.Modifier;
import java.util.Set;
import java.util.TreeSet;

/** The class has just the face of the document. */
public final class FaceTest {
    private static final String[] METHODS = {
        "int addSentence()",
        "int addWord(int,int)",
        "int sentences()",
        "int words(int)",
        "int kind(int,int)",
        "int setWeight(int,int)",
        "int weight(int)",
        "int feature(int,int,int,boolean)",
        "int score(int,int,int)",
        "int mark(int,int,int,int)",
        "int trees(int,boolean)",
        "int best(int,boolean)",
        "int bestByTrying(int,boolean)",
        "int head(int,boolean,int)",
        "int crossings(int)",
        "int ranked(int,boolean,int)",
        "int rankedHead(int,boolean,int,int)",
        "int correct(int,int,int)",
        "int matched(int)",
        "int mend(int)",
        "int steps()",
        "double average(int)",
        "int rollBack()",
    };

    public static void main(String[] args) {
        Check.due("modifiers of the class", Modifier.toString(ArcLight.class.getModifiers()), "public final");
        Check.due("methods", openMethods(), new TreeSet<>(Set.of(METHODS)));
        Check.due("constants", openFields(), new TreeSet<>(Set.of("NONE", "FREE", "FORCED", "FORBIDDEN")));
        checkConstructors();
        checkPrivateNames();
        checkStatics();
        Check.due("NONE", ArcLight.NONE, -1);
        Check.due("FREE", ArcLight.FREE, 0);
        Check.due("FORCED", ArcLight.FORCED, 1);
        Check.due("FORBIDDEN", ArcLight.FORBIDDEN, 2);
        Check.end("FaceTest");
    }

    private static Set<String> openMethods() {
        Set<String> found = new TreeSet<>();
        for (Method method : ArcLight.class.getDeclaredMethods()) {
            if (Modifier.isPrivate(method.getModifiers()) || method.isSynthetic()) {
                continue;
            }
            StringBuilder line = new StringBuilder();
            line.append(method.getReturnType().getName()).append(' ').append(method.getName()).append('(');
            for (Class<?> type : method.getParameterTypes()) {
                line.append(line.charAt(line.length() - 1) == '(' ? "" : ",").append(type.getName());
            }
            found.add(line.append(')').toString());
            Check.due("modifiers of " + method.getName(), Modifier.toString(method.getModifiers()), "public");
        }
        return found;
    }

    private static Set<String> openFields() {
        Set<String> found = new TreeSet<>();
        for (Field field : ArcLight.class.getDeclaredFields()) {
            if (!Modifier.isPrivate(field.getModifiers())) {
                found.add(field.getName());
                Check.due("modifiers of " + field.getName(), Modifier.toString(field.getModifiers()),
                        "public static final");
            }
        }
        return found;
    }

    private static void checkConstructors() {
        Constructor<?>[] constructors = ArcLight.class.getDeclaredConstructors();
        Check.due("constructors", constructors.length, 1);
        Check.due("its parameters", constructors[0].getParameterCount(), 0);
        Check.due("its modifiers", Modifier.toString(constructors[0].getModifiers()), "public");
    }

    private static void checkPrivateNames() {
        Set<String> open = new TreeSet<>();
        for (String method : METHODS) {
            open.add(method.substring(method.indexOf(' ') + 1, method.indexOf('(')));
        }
        for (Method method : ArcLight.class.getDeclaredMethods()) {
            if (Modifier.isPrivate(method.getModifiers())) {
                Check.due(method.getName() + " bears a public name", open.contains(method.getName()), false);
            }
        }
        for (Class<?> inside : ArcLight.class.getDeclaredClasses()) {
            for (Method method : inside.getDeclaredMethods()) {
                Check.due(method.getName() + " bears a public name", open.contains(method.getName()), false);
            }
        }
    }

    private static void checkStatics() {
        for (Field field : ArcLight.class.getDeclaredFields()) {
            if (Modifier.isStatic(field.getModifiers())) {
                Check.due(field.getName() + " is final", Modifier.isFinal(field.getModifiers()), true);
            }
        }
    }
}
