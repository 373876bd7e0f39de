import java.lang.reflect.Constructor;
import java.lang.reflect.Field;
import java.lang.reflect.Method;
import java.lang.reflect.Modifier;
import java.util.Arrays;
import java.util.Set;
import java.util.TreeSet;
import java.util.stream.Collectors;

/** The public face is that of the document, and nothing beside it can be seen from outside. */
public final class FaceTest {
    private static final String[] FACE = {
        "long row(int,int,int)", "long set(int,int,int)", "long copy(int,int,int,int,int)",
        "long drop(int)", "long feed(long,int)", "long life()", "int fault()",
        "long whose(int,int)", "long thing(int,int)", "long judge(int,int)",
        "long purse(int,int)", "long fed(int,int)", "long owed(int,int,int)",
        "long net(int,int)", "long end(int,int)", "long beside(int,int,int)", "long hangs()",
        "long beforehand(int,int)", "long kind(int)", "long as(int,int)", "long ask(int,int)",
        "int trace(int)", "long count(int)", "int status()",
    };
    private static int wrong;

    public static void main(String[] args) {
        Class<?> face = WhatWasHers.class;
        hold(Modifier.isPublic(face.getModifiers()) && Modifier.isFinal(face.getModifiers()),
            "the class is public and final");
        methods(face);
        fields(face);
        Constructor<?>[] constructors = face.getDeclaredConstructors();
        hold(constructors.length == 1 && Modifier.isPublic(constructors[0].getModifiers())
            && constructors[0].getParameterCount() == 0, "one public constructor");
        for (Class<?> inside : face.getDeclaredClasses()) {
            hold(Modifier.isStatic(inside.getModifiers()), inside + " is static");
            hold(!Modifier.isPublic(inside.getModifiers())
                && !Modifier.isProtected(inside.getModifiers()), inside + " is not public");
            hold(inside.getDeclaredClasses().length == 0, inside + " has no class inside");
            ownNames(inside);
        }
        hold(face.getDeclaredClasses().length <= 12, "twelve classes at most");
        System.out.println(wrong == 0 ? "the face is as due" : wrong + " faults of the face");
        if (wrong != 0) {
            System.exit(1);
        }
    }

    private static void methods(Class<?> face) {
        Set<String> seen = new TreeSet<>();
        Set<String> names = new TreeSet<>();
        for (Method m : face.getDeclaredMethods()) {
            if (Modifier.isPublic(m.getModifiers())) {
                seen.add(m.getReturnType() + " " + m.getName() + "("
                    + Arrays.stream(m.getParameterTypes()).map(Class::getName)
                        .collect(Collectors.joining(",")) + ")");
                names.add(m.getName());
            }
        }
        hold(seen.equals(new TreeSet<>(Arrays.asList(FACE))), "the public methods: " + seen);
        for (Method m : face.getDeclaredMethods()) {
            if (!Modifier.isPublic(m.getModifiers())) {
                hold(Modifier.isPrivate(m.getModifiers()), m + " is private");
                hold(!names.contains(m.getName()), m + " has a name of its own");
            }
        }
    }

    private static void ownNames(Class<?> inside) {
        for (Method m : inside.getDeclaredMethods()) {
            for (String one : FACE) {
                hold(!one.contains(" " + m.getName() + "("), m + " has a name of its own");
            }
        }
    }

    private static void fields(Class<?> face) {
        Set<String> seen = new TreeSet<>();
        for (Field f : face.getDeclaredFields()) {
            boolean constant = Modifier.isStatic(f.getModifiers());
            hold(!constant || Modifier.isFinal(f.getModifiers()), f + " is final");
            if (!Modifier.isPrivate(f.getModifiers())) {
                seen.add(f.toString());
            }
        }
        hold(seen.equals(new TreeSet<>(Arrays.asList(
            "public static final int WhatWasHers.NONE",
            "public static final long WhatWasHers.NOT"))), "the public fields: " + seen);
    }

    private static void hold(boolean holds, String what) {
        if (!holds) {
            wrong++;
            System.out.println("does not hold: " + what);
        }
    }
}
