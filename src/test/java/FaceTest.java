import java.lang.reflect.Constructor;
import java.lang.reflect.Field;
import java.lang.reflect.Method;
import java.lang.reflect.Modifier;
import java.util.Arrays;
import java.util.Set;
import java.util.TreeSet;
import java.util.stream.Collectors;

/** The public face: what the document lists, and nothing else that is not private. */
public final class FaceTest {
    private static final String[] DUE = {
        "int feed(int,int,int,int,int) IllegalStateException", "int load(int) IllegalArgumentException IllegalStateException",
        "int errorCode()", "int errorPosition()", "int value(int) IllegalArgumentException", "int setting(int) IllegalArgumentException",
        "int count(int) IllegalArgumentException", "int mule(int,int) NoSuchElementException IllegalArgumentException",
        "int nameByte(int,int) NoSuchElementException", "int sack(int,int) NoSuchElementException IllegalArgumentException",
        "int stage(int,int) NoSuchElementException IllegalArgumentException", "int gap()", "int whyNot(int,int) NoSuchElementException",
        "int whyNoTrip(int) IllegalArgumentException", "int tripBrings()", "int fate(int) NoSuchElementException",
        "int tiredBy(int) NoSuchElementException", "int bestWorth(int) NoSuchElementException", "int bestSack(int) NoSuchElementException",
        "int lighter(int) NoSuchElementException", "int freshIn(int) NoSuchElementException", "int deepest(int) NoSuchElementException",
        "double worthOfLoads()", "float filled(int) NoSuchElementException",
        "int pack(int,int,int) NoSuchElementException IllegalArgumentException IllegalStateException",
        "int unpack(int) NoSuchElementException IllegalStateException", "int fill(int) NoSuchElementException",
        "int shift(int) NoSuchElementException IllegalStateException", "int trip() IllegalStateException",
        "int rest(int) IllegalArgumentException IllegalStateException", "int addSack(int,int,int) IllegalArgumentException IllegalStateException",
        "int addStage(int,int) IllegalArgumentException IllegalStateException", "int dropStage(int) NoSuchElementException",
        "int set(int,int) IllegalArgumentException", "int restore(int) IllegalArgumentException IllegalStateException",
        "int undo() IllegalStateException", "int save(int) IllegalArgumentException", "int writeMule(int) NoSuchElementException",
        "int writeWay()", "int outputByte(int) IndexOutOfBoundsException"};

    public static void main(String[] args) {
        Class<?> face = MuleTrain.class;
        Check.due("public and final", face.getModifiers() & (Modifier.PUBLIC | Modifier.FINAL), Modifier.PUBLIC | Modifier.FINAL);
        Check.due("NONE", MuleTrain.NONE, -1);
        Set<String> got = new TreeSet<>();
        Set<String> hidden = new TreeSet<>();
        for (Method method : face.getDeclaredMethods()) {
            if (Modifier.isPrivate(method.getModifiers())) {
                hidden.add(method.getName());
            } else {
                got.add(line(method));
            }
        }
        if (!got.equals(new TreeSet<>(Arrays.asList(DUE)))) {
            Check.fault("the methods are " + got);
        }
        for (String due : DUE) {
            String name = due.substring(due.indexOf(' ') + 1, due.indexOf('('));
            if (hidden.contains(name)) {
                Check.fault("a private method is named " + name);
            }
        }
        fields(face);
        constructors(face);
        Check.end();
    }

    private static String line(Method method) {
        String parameters = Arrays.stream(method.getParameterTypes()).map(Class::getSimpleName).collect(Collectors.joining(","));
        String thrown = Arrays.stream(method.getExceptionTypes()).map(type -> " " + type.getSimpleName()).collect(Collectors.joining());
        return method.getReturnType().getSimpleName() + " " + method.getName() + "(" + parameters + ")" + thrown;
    }

    private static void fields(Class<?> face) {
        for (Field field : face.getDeclaredFields()) {
            if (!Modifier.isPrivate(field.getModifiers()) && !field.getName().equals("NONE")) {
                Check.fault("the field " + field.getName() + " is not private");
            }
            if (Modifier.isStatic(field.getModifiers()) && !Modifier.isFinal(field.getModifiers())) {
                Check.fault("the static field " + field.getName() + " is not final");
            }
        }
    }

    private static void constructors(Class<?> face) {
        Constructor<?>[] all = face.getDeclaredConstructors();
        Check.due("constructors", all.length, 1);
        Check.due("parameters of the constructor", all[0].getParameterCount(), 0);
    }
}
