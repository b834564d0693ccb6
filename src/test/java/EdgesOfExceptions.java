import java.lang.reflect.InvocationTargetException;
import java.lang.reflect.Method;
import java.lang.reflect.Modifier;
import java.util.ArrayList;
import java.util.List;

/** Sentences of the terms: exceptions, for all methods alike. */
final class EdgesOfExceptions {
    private static final Check.Scene[] ANY = {Scenes.EMPTY, Scenes.BUSY, Scenes.FULL, Scenes.AT_THE_END};
    private static final int[] WRONG = {-2, -1000, Integer.MIN_VALUE, Integer.MAX_VALUE};

    private EdgesOfExceptions() {
    }

    static void hold() {
        Edges.terms();
        Edges.holds("A method that throws an exception changes nothing.", () -> {
            for (Method method : withWrongArguments()) {
                for (int wrong : WRONG) {
                    for (Check.Scene scene : ANY) {
                        Check.refuses(method.getName() + " of " + wrong, firstOf(method), scene,
                                l -> call(l, method, wrong));
                    }
                }
            }
        });
        Edges.holds("If several exceptions apply, the one that comes first in the method's list of exceptions is thrown.",
                () -> {
                    bothApply("addStation", Scenes.FULL, l -> l.addStation(360, 0, 1, 0, 1, 0));
                    bothApply("setLoss", Scenes.BUSY, l -> l.setLoss(2, 100));
                    bothApply("setMemory", Scenes.BUSY, l -> l.setMemory(23));
                    bothApply("passBegin", Scenes.BUSY, l -> l.passBegin(2, 1000));
                    bothApply("passEnd", Scenes.BUSY, l -> l.passEnd(2, 1000));
                    bothApply("isVisible", Scenes.BUSY, l -> l.isVisible(2, 100000));
                    bothApply("coverage", Scenes.BUSY, l -> l.coverage(2, 100000, 1441));
                    bothApply("nextPass", Scenes.BUSY, l -> l.nextPass(2, 100000));
                    bothApply("passFrames", Scenes.BUSY, l -> l.passFrames(2, 1000));
                    bothApply("addRecord", Scenes.FULL, l -> l.addRecord(25, 0));
                    bothApply("addRecord", Scenes.FULL, l -> l.addRecord(1, 10));
                    bothApply("setPriority", Scenes.BUSY, l -> l.setPriority(3, 10));
                    bothApply("frames", Scenes.BUSY, l -> l.frames(3, 4));
                    bothApply("advance", Scenes.AT_THE_END, l -> l.advance(1441));
                    bothApply("stationFigure", Scenes.BUSY, l -> l.stationFigure(2, 5));
                    bothApply("restore", Scenes.EMPTY, l -> l.restore(2));
                });
        Edges.holds("The constants: `NONE = -1`: There is none.", () -> {
            Check.is("NONE", PassLink.NONE, -1);
            Check.is("a new object's present station", new PassLink().presentStation(), PassLink.NONE);
        });
    }

    /** Every method with arguments, but for the one that takes every number. */
    private static List<Method> withWrongArguments() {
        List<Method> methods = new ArrayList<>();
        for (Method method : PassLink.class.getDeclaredMethods()) {
            boolean open = Modifier.isPublic(method.getModifiers());
            if (open && method.getParameterCount() > 0 && !method.getName().equals("appendText")) {
                methods.add(method);
            }
        }
        Check.is("methods with arguments that may be wrong", methods.size(), 43);
        return methods;
    }

    private static Class<? extends RuntimeException> firstOf(Method method) {
        return method.getExceptionTypes()[0].asSubclass(RuntimeException.class);
    }

    private static void call(PassLink link, Method method, int number) {
        Object[] arguments = new Object[method.getParameterCount()];
        for (int k = 0; k < arguments.length; k++) {
            arguments[k] = method.getParameterTypes()[k] == boolean.class ? (Object) true : (Object) number;
        }
        try {
            // The seed may be as great as a number can be.
            if (method.getName().equals("setSeed") && number > 0) {
                arguments[0] = -number;
            }
            method.invoke(link, arguments);
        } catch (InvocationTargetException e) {
            throw (RuntimeException) e.getCause();
        } catch (IllegalAccessException e) {
            throw new AssertionError(e);
        }
    }

    /** The first exception of the method's list, of which there are two, and which the document's face tells. */
    private static void bothApply(String name, Check.Scene scene, Check.Call call) {
        for (Method method : PassLink.class.getDeclaredMethods()) {
            if (method.getName().equals(name)) {
                Check.is("exceptions of " + name, method.getExceptionTypes().length, 2);
                Check.refuses(name, firstOf(method), scene, call);
            }
        }
    }
}
