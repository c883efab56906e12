import java.io.IOException;
import java.lang.reflect.Constructor;
import java.lang.reflect.Field;
import java.lang.reflect.Method;
import java.lang.reflect.Modifier;
import java.util.Set;
import java.util.TreeSet;

/** The class has the document's face, and nothing beside it that others could use. */
public final class FaceTest {
    private FaceTest() {
    }

    private static String told(Method method) {
        StringBuilder told = new StringBuilder(method.getReturnType().getSimpleName() + " " + method.getName() + "(");
        String comma = "";
        for (Class<?> type : method.getParameterTypes()) {
            told.append(comma).append(type.getSimpleName());
            comma = ",";
        }
        told.append(")");
        for (Class<?> type : method.getExceptionTypes()) {
            told.append(" throws ").append(type.getSimpleName());
        }
        return told.toString();
    }

    public static void main(String[] args) throws ReflectiveOperationException, IOException {
        Check.dueTrue("the class is public", Modifier.isPublic(GameText.class.getModifiers()));
        Check.dueTrue("the class is final", Modifier.isFinal(GameText.class.getModifiers()));
        Set<String> face = new TreeSet<>();
        Set<String> names = new TreeSet<>();
        for (Method method : GameText.class.getDeclaredMethods()) {
            if (!Modifier.isPrivate(method.getModifiers())) {
                Check.dueTrue(method + " is public, of the object", method.getModifiers() == Modifier.PUBLIC);
                face.add(told(method));
                names.add(method.getName());
            }
        }
        Set<String> told = new TreeSet<>(new Document().methods());
        Check.due("the document's methods", 14, told.size());
        Check.dueTrue("the methods are " + face + ", the document's are " + told, face.equals(told));
        for (Field field : GameText.class.getDeclaredFields()) {
            boolean isConstant = field.getName().equals("NONE");
            Check.dueTrue(field + " is private, or NONE", isConstant == !Modifier.isPrivate(field.getModifiers()));
        }
        Check.due("NONE", -1, GameText.class.getField("NONE").getInt(null));
        Check.due("NONE's modifiers", Modifier.PUBLIC | Modifier.STATIC | Modifier.FINAL,
            GameText.class.getField("NONE").getModifiers());
        Constructor<?>[] constructors = GameText.class.getDeclaredConstructors();
        Check.due("constructors", 1, constructors.length);
        Check.dueTrue("the constructor is public", Modifier.isPublic(constructors[0].getModifiers()));
        Check.due("its parameters", 0, constructors[0].getParameterCount());
        for (Class<?> inside : GameText.class.getDeclaredClasses()) {
            Check.dueTrue(inside + " is private", Modifier.isPrivate(inside.getModifiers()));
            Check.dueTrue(inside + " is static", Modifier.isStatic(inside.getModifiers()));
            for (Method method : inside.getDeclaredMethods()) {
                Check.dueTrue(method + " is private", Modifier.isPrivate(method.getModifiers()));
                Check.dueTrue(method + " bears a name of its own", !names.contains(method.getName()));
            }
        }
        Check.finish("FaceTest");
    }
}
