/** The document, sentence by sentence: the cases at the bounds that each of them names. */
public final class BoundsTest {
  public static void main(String[] args) {
    TextBounds.all();
    EventBounds.all();
    WaterBounds.all();
    LogBounds.all();
    MinuteBounds.all();
    PlanBounds.all();
    SeenBounds.all();
    ChanceBounds.all();
    SheetBounds.all();
    CountBounds.all();
    RefusalBounds.all();
    Says.nothingIsLeftOut();
    Due.end();
  }
}
