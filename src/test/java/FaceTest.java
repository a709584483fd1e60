import java.lang.reflect.Constructor;
import java.lang.reflect.Field;
import java.lang.reflect.Member;
import java.lang.reflect.Method;
import java.lang.reflect.Modifier;
import java.util.List;
import java.util.Set;
import java.util.TreeSet;

/** The public face of the document, and no other member that is not private (LANGUAGE.md, rule 1). */
public final class FaceTest {
    private static final List<String> METHODS = List.of(
            "int coin(int,int)",
            "boolean rate(int,int)",
            "int good(int,int)",
            "boolean sold(int,int)",
            "boolean step(int)",
            "int price(int,int)",
            "long gain(int)",
            "int fairest()",
            "long gains(int)",
            "int fewest(int,int,int)",
            "int greedy(int,int)",
            "int odd(int)",
            "int till()",
            "int put(int,int,int,int)",
            "int sale(int,int,int,int,int)",
            "int given(int,int)",
            "long tell(int,int)",
            "int has(int,int,int)",
            "long draw(int)",
            "int drawn(int)",
            "int expect(int,int,int,int,int)",
            "boolean forget(int)",
            "int wanted(int,int)",
            "int about(int,int)",
            "boolean image(int)",
            "boolean again(int)");
    private static final Due DUE = new Due();

    public static void main(String[] args) {
        Class<?> face = NewCoins.class;
        DUE.is("public and final", true,
                Modifier.isPublic(face.getModifiers()) && Modifier.isFinal(face.getModifiers()));
        methods(face);
        constructors(face);
        fields(face);
        for (Class<?> inside : face.getDeclaredClasses()) {
            inside(inside);
        }
        DUE.end();
    }

    private static void methods(Class<?> face) {
        Set<String> found = new TreeSet<>();
        Set<String> names = new TreeSet<>();
        for (Method m : face.getDeclaredMethods()) {
            if (!isPrivate(m)) {
                found.add(signature(m));
                names.add(m.getName());
            }
        }
        for (String want : METHODS) {
            DUE.is("there is " + want, true, found.remove(want));
        }
        for (String more : found) {
            DUE.is("there is no " + more, true, false);
        }
        for (Method m : face.getDeclaredMethods()) {
            if (isPrivate(m)) {
                DUE.is("a private " + m.getName(), false, names.contains(m.getName()));
            }
        }
    }

    private static String signature(Method m) {
        StringBuilder text = new StringBuilder();
        for (Class<?> type : m.getParameterTypes()) {
            text.append(text.length() == 0 ? "" : ",").append(type.getName());
        }
        String only = Modifier.toString(m.getModifiers()).equals("public") ? "" : "not only public: ";
        return only + m.getReturnType().getName() + " " + m.getName() + "(" + text + ")";
    }

    private static void constructors(Class<?> face) {
        Constructor<?>[] all = face.getDeclaredConstructors();
        DUE.is("constructors", 1, all.length);
        DUE.is("its parameters", 0, all[0].getParameterCount());
        DUE.is("it is public", true, Modifier.isPublic(all[0].getModifiers()));
    }

    private static void fields(Class<?> face) {
        for (Field f : face.getDeclaredFields()) {
            if (f.getName().equals("NONE")) {
                DUE.is("NONE is public static final", true,
                        Modifier.toString(f.getModifiers()).equals("public static final"));
            } else {
                DUE.is("field " + f.getName() + " is private", true, isPrivate(f));
            }
            if (Modifier.isStatic(f.getModifiers())) {
                DUE.is("field " + f.getName() + " is final", true, Modifier.isFinal(f.getModifiers()));
            }
        }
    }

    private static void inside(Class<?> c) {
        DUE.is(c.getName() + " is static", true, Modifier.isStatic(c.getModifiers()));
        DUE.is(c.getName() + " is not public", false, Modifier.isPublic(c.getModifiers()));
        for (Field f : c.getDeclaredFields()) {
            DUE.is(c.getName() + " has no state of the class", false,
                    Modifier.isStatic(f.getModifiers()));
        }
    }

    private static boolean isPrivate(Member m) {
        return Modifier.isPrivate(m.getModifiers());
    }
}
