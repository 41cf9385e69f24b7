import java.lang.reflect.Constructor;
import java.lang.reflect.Field;
import java.lang.reflect.Method;
import java.lang.reflect.Modifier;
import java.util.Arrays;
import java.util.Set;
import java.util.TreeSet;

/** The public face, as the document writes it, and promise 1: a new object. */
public final class FaceTest {
    private static final String[] FACE = {
        "int feed(int,int,int,int,int)",
        "boolean end(int)",
        "boolean lane(int,boolean) IndexOutOfBoundsException",
        "void gate(int) IndexOutOfBoundsException",
        "int tent(int,int) IllegalArgumentException UnsupportedOperationException",
        "boolean strike(int) IndexOutOfBoundsException",
        "int at(int) IndexOutOfBoundsException",
        "int place(int,int) IllegalArgumentException UnsupportedOperationException",
        "void crowd(int,int) IndexOutOfBoundsException IllegalArgumentException",
        "boolean shut(int,boolean) IndexOutOfBoundsException",
        "int way(int,int,int,int) IndexOutOfBoundsException IllegalArgumentException UnsupportedOperationException",
        "int empty()",
        "int worst()",
        "int act(int,boolean,int,int) IndexOutOfBoundsException IllegalArgumentException",
        "int tooMany()",
        "int shift(int) IndexOutOfBoundsException",
        "int forget()",
        "int minutes(int) IllegalArgumentException",
        "int pass(int,boolean,int) IndexOutOfBoundsException IllegalArgumentException",
        "boolean inside(int,int,int) IndexOutOfBoundsException",
        "int within(boolean,int,int)",
        "void noise(int,int) IllegalArgumentException",
        "int licence() IllegalArgumentException",
        "int fault()",
        "int broken()",
        "int count(int)",
    };

    public static void main(String[] args) {
        Due due = new Due();
        due.is("NONE", -1, FestivalFields.NONE);
        due.yes("the class is public and final",
            (FestivalFields.class.getModifiers() & (Modifier.PUBLIC | Modifier.FINAL)) == (Modifier.PUBLIC | Modifier.FINAL));
        methods(due);
        otherMembers(due);
        newObject(due);
        due.end();
    }

    private static void methods(Due due) {
        Set<String> got = new TreeSet<>();
        Set<String> names = new TreeSet<>();
        for (Method method : FestivalFields.class.getDeclaredMethods()) {
            if (Modifier.isPublic(method.getModifiers())) {
                got.add(text(method));
                names.add(method.getName());
            }
        }
        Set<String> face = new TreeSet<>(Arrays.asList(FACE));
        if (!got.equals(face)) {
            System.out.println("the face is " + got);
        }
        due.yes("the public methods are the document's", got.equals(face));
        for (Method method : FestivalFields.class.getDeclaredMethods()) {
            boolean open = Modifier.isPublic(method.getModifiers());
            due.yes(method + " is public or private", open || Modifier.isPrivate(method.getModifiers()));
            due.no(method + " bears a public one's name", !open && names.contains(method.getName()));
        }
    }

    private static String text(Method method) {
        StringBuilder text = new StringBuilder();
        text.append(method.getReturnType().getSimpleName()).append(' ').append(method.getName()).append('(');
        for (int i = 0; i < method.getParameterCount(); i++) {
            text.append(i == 0 ? "" : ",").append(method.getParameterTypes()[i].getSimpleName());
        }
        text.append(')');
        for (Class<?> thrown : method.getExceptionTypes()) {
            text.append(' ').append(thrown.getSimpleName());
        }
        return text.toString();
    }

    private static void otherMembers(Due due) {
        for (Field field : FestivalFields.class.getDeclaredFields()) {
            due.yes(field + " is private or NONE",
                Modifier.isPrivate(field.getModifiers()) || field.getName().equals("NONE"));
        }
        for (Constructor<?> constructor : FestivalFields.class.getDeclaredConstructors()) {
            due.is(constructor + ": parameters", 0, constructor.getParameterCount());
            due.yes(constructor + " is public", Modifier.isPublic(constructor.getModifiers()));
        }
        for (Class<?> inside : FestivalFields.class.getDeclaredClasses()) {
            due.yes(inside + " is static", Modifier.isStatic(inside.getModifiers()));
            due.no(inside + " is public", Modifier.isPublic(inside.getModifiers()));
        }
    }

    private static void newObject(Due due) {
        FestivalFields x = new FestivalFields();
        for (int square = 0; square < 192; square++) {
            due.is("new: at(" + square + ")", FestivalFields.NONE, x.at(square));
        }
        for (int what = 0; what <= 9; what++) {
            due.is("new: count(" + what + ")", 0, x.count(what));
        }
        due.is("new: empty()", 0, x.empty());
        due.is("new: worst()", FestivalFields.NONE, x.worst());
        due.is("new: tooMany()", 0, x.tooMany());
        due.is("new: fault()", FestivalFields.NONE, x.fault());
        due.is("new: broken()", FestivalFields.NONE, x.broken());
        due.is("new: within(false, ..)", 0, x.within(false, 0, 0));
        due.is("new: within(true, ..)", 0, x.within(true, 0, 0));
        due.yes("new: the TAPE has nothing", x.end(0) && !x.end(1));
        due.outOfBounds("new: strike(0)", () -> x.strike(0));
        due.outOfBounds("new: crowd(0, 0)", () -> x.crowd(0, 0));
        due.outOfBounds("new: shut(0, true)", () -> x.shut(0, true));
        due.outOfBounds("new: act(0, ..)", () -> x.act(0, false, 0, 0));
        due.outOfBounds("new: shift(0)", () -> x.shift(0));
        due.is("new: the GATE is square 0", 0, x.tent(1, 1));
        due.is("new: at(0) behind tent", 0, x.at(0));
    }
}
