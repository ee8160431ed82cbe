import java.lang.reflect.Constructor;
import java.lang.reflect.Field;
import java.lang.reflect.Method;
import java.lang.reflect.Modifier;
import java.util.Arrays;
import java.util.Set;
import java.util.TreeSet;

/** The public face has what the document says, and nothing else can be seen from outside. */
public final class FaceTest {
    private static final Kit KIT = new Kit("FaceTest");

    private static final String[] METHODS = {
        "public int feed(int,int,int,int,int) IllegalArgumentException,IllegalStateException",
        "public int cut(int) IllegalArgumentException", "public int load() ",
        "public boolean drop(int) IllegalArgumentException",
        "public int type(int,int,int,int,int) IllegalStateException", "public int erase() ",
        "public int search() ", "public int place() ", "public int found(int) ",
        "public int record(int,int) IllegalArgumentException",
        "public int octet(int,int) IllegalArgumentException",
        "public int words(int) IllegalArgumentException",
        "public char word(int,int,int) IllegalArgumentException",
        "public int hits(int,int) IllegalArgumentException",
        "public int below(int) IllegalArgumentException"};

    private static final String[] CONSTANTS = {"NONE", "SIGN", "INDEX", "RELATION", "FORM",
        "LENGTH", "FIELD", "TWICE", "FULL"};

    public static void main(String[] args) {
        KIT.due("the class", Modifier.toString(CatalogQuery.class.getModifiers()), "public final");
        methods();
        fields();
        classesInside();
        Constructor<?>[] constructors = CatalogQuery.class.getDeclaredConstructors();
        KIT.due("constructors", constructors.length, 1);
        KIT.due("the constructor", constructors[0].toString(), "public CatalogQuery()");
        KIT.end();
    }

    private static String names(Class<?>... classes) {
        String[] names = new String[classes.length];
        for (int i = 0; i < classes.length; i++) {
            names[i] = classes[i].getSimpleName();
        }
        return String.join(",", names);
    }

    private static void methods() {
        Set<String> seen = new TreeSet<>();
        Set<String> publicNames = new TreeSet<>();
        Set<String> privateNames = new TreeSet<>();
        for (Method m : CatalogQuery.class.getDeclaredMethods()) {
            if (Modifier.isPrivate(m.getModifiers())) {
                privateNames.add(m.getName());
            } else {
                publicNames.add(m.getName());
                seen.add(Modifier.toString(m.getModifiers()) + " " + m.getReturnType() + " "
                        + m.getName() + "(" + names(m.getParameterTypes()) + ") "
                        + names(m.getExceptionTypes()));
            }
        }
        KIT.due("methods", seen.toString(), new TreeSet<>(Arrays.asList(METHODS)).toString());
        privateNames.retainAll(publicNames);
        KIT.due("private methods with a public one's name", privateNames.toString(), "[]");
    }

    private static void fields() {
        Set<String> seen = new TreeSet<>();
        for (Field f : CatalogQuery.class.getDeclaredFields()) {
            if (!Modifier.isPrivate(f.getModifiers())) {
                seen.add(f.getName());
                KIT.due(f.getName(), f.toString(),
                        "public static final int CatalogQuery." + f.getName());
            }
            if (Modifier.isStatic(f.getModifiers())) {
                KIT.due(f + " is final", Modifier.isFinal(f.getModifiers()) ? 1 : 0, 1);
            }
        }
        KIT.due("constants", seen.toString(), new TreeSet<>(Arrays.asList(CONSTANTS)).toString());
    }

    private static void classesInside() {
        for (Class<?> inside : CatalogQuery.class.getDeclaredClasses()) {
            int modifiers = inside.getModifiers();
            KIT.due(inside + " is static", Modifier.isStatic(modifiers) ? 1 : 0, 1);
            KIT.due(inside + " is not public", Modifier.isPublic(modifiers) ? 1 : 0, 0);
            for (Field f : inside.getDeclaredFields()) {
                boolean fits = !Modifier.isStatic(f.getModifiers())
                        || Modifier.isFinal(f.getModifiers());
                KIT.due(f + " is final", fits ? 1 : 0, 1);
            }
        }
    }
}
