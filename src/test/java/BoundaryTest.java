import java.io.IOException;
import java.lang.reflect.InvocationTargetException;
import java.lang.reflect.Method;
import java.nio.file.Path;
import java.util.List;

/** A test for each sentence of the document; it fails, too, if there are words of it that have none. */
public final class BoundaryTest {
    private static final List<Class<?>> PARTS = List.of(
        TermsCases.class, StandingCases.class, TextCases.class, ChangeCases.class, FilingCases.class, LookCases.class,
        WhatIfCases.class, PadCases.class, HistoryCases.class);

    public static void main(String[] args) throws IOException, ReflectiveOperationException {
        Probe probe = new Probe();
        Document document = new Document(Path.of("../shared/DOC.md"));
        int sentences = 0;
        for (Class<?> part : PARTS) {
            for (Method method : part.getDeclaredMethods()) {
                if (method.isAnnotationPresent(Says.class)) {
                    sentences++;
                    runTest(method, probe, document);
                }
            }
        }
        for (String words : document.untested()) {
            probe.begins(words);
            probe.check("has no test", false);
        }
        System.out.println("BoundaryTest: " + sentences + " sentences, " + probe.passed() + " passed, " + probe.failed() + " failed");
        if (probe.failed() != 0) {
            System.exit(1);
        }
    }

    private static void runTest(Method method, Probe probe, Document document) throws ReflectiveOperationException {
        Says says = method.getAnnotation(Says.class);
        probe.begins(says.in() + ": " + says.text());
        probe.check("does not stand in the document just once", document.mark(says.in(), says.text()));
        int before = probe.passed() + probe.failed();
        try {
            method.invoke(null, probe);
        } catch (InvocationTargetException thrown) {
            probe.check("threw " + thrown.getCause(), false);
        }
        probe.check("asks nothing", probe.passed() + probe.failed() > before);
    }
}
