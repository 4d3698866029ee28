import java.lang.reflect.Constructor;
import java.lang.reflect.Field;
import java.lang.reflect.Method;
import java.lang.reflect.Modifier;
import java.util.Arrays;
import java.util.Set;
import java.util.TreeSet;

/** The class's face, as the document gives it. */
final class FaceTests {
    private static final String[] DUE = {
        "int wagon(int,int)IllegalArgumentException,IllegalStateException",
        "int shunt(int,int,int,int)IllegalArgumentException,IllegalStateException",
        "int wash(int)IllegalArgumentException,IllegalStateException",
        "boolean follow(int,int)IllegalArgumentException",
        "int on(int,int)IllegalArgumentException",
        "int at(int,int,int)IllegalArgumentException,IndexOutOfBoundsException",
        "int atByReplay(int,int,int)IllegalArgumentException,IndexOutOfBoundsException",
        "int where(int)IndexOutOfBoundsException",
        "int carried(int)IndexOutOfBoundsException",
        "int promised(int)IndexOutOfBoundsException",
        "int call(int,int)IllegalArgumentException,IllegalStateException",
        "int ask(int,int)IndexOutOfBoundsException,IllegalArgumentException,IllegalStateException",
        "int confirm(int)IndexOutOfBoundsException,IllegalStateException",
        "int resume(int,int)IndexOutOfBoundsException,IllegalStateException",
        "int cancel(int,int)IndexOutOfBoundsException,IllegalStateException",
        "int hangUp(int)IndexOutOfBoundsException,IllegalStateException",
        "int callOf(int)IllegalArgumentException",
        "int way(int)IndexOutOfBoundsException,IllegalStateException",
        "int busy()",
        "int cut(int,int,int)IllegalArgumentException,IllegalStateException",
        "void mend(int,int,int)IllegalArgumentException,IllegalStateException",
        "int trunk(int,int,int)IllegalArgumentException",
        "int setLines(int,int)IllegalArgumentException,IllegalStateException",
        "int pass(int)IllegalArgumentException,IllegalStateException",
        "int bookings()",
        "int state(int)IndexOutOfBoundsException",
        "int wagons(int)IndexOutOfBoundsException",
        "int wagonOf(int,int)IndexOutOfBoundsException",
        "int lapses(int)IndexOutOfBoundsException,IllegalStateException",
        "int depart(int,int,int)IllegalArgumentException,IllegalStateException",
        "int arrive(int,int)IndexOutOfBoundsException,IllegalArgumentException,IllegalStateException",
        "int trains()",
    };

    private FaceTests() {
    }

    static void allMembersAreTheDocuments() {
        Set<String> seen = new TreeSet<>();
        Set<String> hidden = new TreeSet<>();
        for (Method method : TrunkYards.class.getDeclaredMethods()) {
            if (Modifier.isPublic(method.getModifiers())) {
                seen.add(textOf(method));
            } else {
                require(Modifier.isPrivate(method.getModifiers()), method.getName() + " is private");
                hidden.add(method.getName());
            }
        }
        require(seen.equals(new TreeSet<>(Arrays.asList(DUE))), "the public methods are the document's: " + seen);
        for (String text : DUE) {
            String name = text.substring(text.indexOf(' ') + 1, text.indexOf('('));
            require(!hidden.contains(name), "no private method is named " + name);
        }
        for (Field field : TrunkYards.class.getDeclaredFields()) {
            require(Modifier.isPrivate(field.getModifiers()), field.getName() + " is private");
        }
    }

    static void allMakingIsByOnePublicConstructor() {
        require(Modifier.isPublic(TrunkYards.class.getModifiers()), "the class is public");
        require(Modifier.isFinal(TrunkYards.class.getModifiers()), "the class is final");
        Constructor<?>[] constructors = TrunkYards.class.getDeclaredConstructors();
        require(constructors.length == 1, "there is one constructor");
        require(Modifier.isPublic(constructors[0].getModifiers()), "it is public");
        require(constructors[0].getParameterCount() == 0, "it takes nothing");
        for (Class<?> inside : TrunkYards.class.getDeclaredClasses()) {
            require(Modifier.isStatic(inside.getModifiers()), inside.getName() + " is static");
            require(!Modifier.isPublic(inside.getModifiers()), inside.getName() + " is not public");
            require(!Modifier.isProtected(inside.getModifiers()), inside.getName() + " is not protected");
        }
    }

    private static String textOf(Method method) {
        StringBuilder text = new StringBuilder();
        text.append(method.getReturnType().getSimpleName()).append(' ').append(method.getName());
        text.append('(').append(joined(method.getParameterTypes())).append(')');
        return text.append(joined(method.getExceptionTypes())).toString();
    }

    private static String joined(Class<?>[] types) {
        StringBuilder text = new StringBuilder();
        for (Class<?> type : types) {
            text.append(text.length() == 0 ? "" : ",").append(type.getSimpleName());
        }
        return text.toString();
    }

    private static void require(boolean holds, String what) {
        if (!holds) {
            throw new AssertionError("not so: " + what);
        }
    }
}
